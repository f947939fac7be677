theorem simAll : SimAll Rel := sorry
