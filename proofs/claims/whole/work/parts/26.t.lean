theorem mt_77 : ∃ q, mP[77]? = some q := ⟨_, rfl⟩
