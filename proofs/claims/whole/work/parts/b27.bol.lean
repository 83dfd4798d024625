/-! MATHEMATICS: the boards' lines -/
def spI (i a b c : Nat) : Int32 := ((nI (cxy (cxn i) a) * (nI (cxy (cyn i) b) * nI (cxy (czn i) c) - nI (cxy (cyn i) c) * nI (cxy (czn i) b))) - (nI (cxy (cyn i) a) * (nI (cxy (cxn i) b) * nI (cxy (czn i) c) - nI (cxy (cxn i) c) * nI (cxy (czn i) b)))) + (nI (cxy (czn i) a) * (nI (cxy (cxn i) b) * nI (cxy (cyn i) c) - nI (cxy (cxn i) c) * nI (cxy (cyn i) b)))
theorem spI_t : ∀ i, i < 5 → ∀ a, a < d_pl i → ∀ b, b < d_pl i → ∀ c, c < d_pl i → spz (d_md i) (spI i a b c) = tbi i a b c := by decide +kernel
theorem bil_t : ∀ i, i < 5 → ∀ a, a < d_pl i → ∀ b, b < d_pl i → ∀ c, c < d_pl i → bil i a b c = tbi i a b c := by decide +kernel
