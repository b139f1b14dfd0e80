/-! players of M -/
theorem ndOK_less {sh : Int → Bool} {all K K' : Int} {f : Int → Int} (h : ndOK sh all K f) (hK : K' ≤ K) : ndOK sh all K' f := ⟨h.1, fun s h1 h2 h3 => h.2 s h1 (by omega) h3⟩