section SB
variable {t : Nat → Nat} {n F : Nat}
theorem FL_fu {N : Nat} (hN : kin t n (pls t n (N)) = 24 ∨ kin t n (pls t n (N)) = 25) : ∀ f p k h m, k ≤ N → N - k + 1 ≤ f → okZ (FL t n f p k h m)
  | 0, p, k, h, m, hk, hf => absurd hf (by omega)
  | f + 1, p, k, h, m, hk, hf => by
    rw [FL_s]
    split
    · next q =>
      have h1 := nxN hN hk q (by omega) (by omega)
      exact okZ.nu fun x q2 => by
        have h2 := nxN hN h1 q2 (by omega) (by omega)
        exact FL_fu hN f _ _ _ _ (by omega) (by omega)
    · split
      · next q =>
        have h1 := nxN hN hk q (by omega) (by omega)
        exact okZ.nu fun x q2 => by
          have h2 := nxN hN h1 q2 (by omega) (by omega)
          exact FL_fu hN f _ _ _ _ (by omega) (by omega)
      · split
        · next q =>
          have h1 := nxN hN hk q (by omega) (by omega)
          exact FL_fu hN f _ _ _ _ h1 (by omega)
        · exact okZ.gd
theorem FL_go {N : Nat} (hN : kin t n (pls t n (N)) = 24 ∨ kin t n (pls t n (N)) = 25) : ∀ f p k h m k' h' m', k ≤ N → FL t n f p k h m = Rz.good k' h' m' → k ≤ k' ∧ k' ≤ N
  | 0, p, k, h, m, k', h', m', hk, e => absurd e (fun e => zbad_good e)
  | f + 1, p, k, h, m, k', h', m', hk, e => by
    rw [FL_s] at e
    split at e
    · next q =>
      have h1 := nxN hN hk q (by omega) (by omega)
      obtain ⟨q2, x, _, _, e⟩ := nu_good e
      have h2 := nxN hN h1 q2 (by omega) (by omega)
      have := FL_go hN f _ _ _ _ _ _ _ (by omega) e
      omega
    · split at e
      · next q =>
        have h1 := nxN hN hk q (by omega) (by omega)
        obtain ⟨q2, x, _, _, e⟩ := nu_good e
        have h2 := nxN hN h1 q2 (by omega) (by omega)
        have := FL_go hN f _ _ _ _ _ _ _ (by omega) e
        omega
      · split at e
        · next q =>
          have h1 := nxN hN hk q (by omega) (by omega)
          have := FL_go hN f _ _ _ _ _ _ _ h1 e
          omega
        · obtain ⟨rfl, _⟩ := zgood_inj e
          omega
theorem PR_le {N lw f md v k k' : Nat} {cs : List Int} (hN : kin t n (pls t n (N)) = 24 ∨ kin t n (pls t n (N)) = 25) (hk : k ≤ N) (hm : md ≤ 9) (e : PR t n lw f md v k = Rs.good k' cs) : k ≤ k' ∧ k' ≤ N := by
  obtain ⟨h1, h2, h3⟩ := PR_go hm e
  refine ⟨h1, ?_⟩
  apply Classical.byContradiction
  intro q
  have := h3 N hk (by omega)
  omega
end SB
