/-! boards of games: see 73g -/
