/-! ===== ENTRIES ARE RIGHT, by program ===== -/
