theorem pu_main : ∃ Inv, pu_ok 64 Inv := sorry
