theorem zz_all : ∃ I : Zs → Zs → Prop, zSim I ∧ I zuC zuM := sorry
