theorem mo_all : ∀ id, id < q_lawId → q_mo id = true := sorry
theorem k_all : ∀ id, id ≤ q_lawId → q_pk id = 0 → ∀ q ∈ q_tabs.getD id [], q_chk id q = true := sorry
