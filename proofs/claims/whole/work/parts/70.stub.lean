theorem zlaw_ok : zLaw := sorry
